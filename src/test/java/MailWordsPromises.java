/** Each promise of the document: ordinary inputs, the edges that it names, and wrong inputs. */
public final class MailWordsPromises {
    private static int wrong = 0;
    private static int asked = 0;

    private static void due(String call, Object got, Object want) {
        asked++;
        if (!got.equals(want)) {
            wrong++;
            System.out.println(call + " answered " + got + ", due is " + want);
        }
    }

    private static MailWords of(String text) {
        MailWords x = new MailWords();
        add(x, text);
        return x;
    }

    private static void add(MailWords x, String text) {
        for (int from = 0; from < text.length(); from += 8) {
            int many = Math.min(8, text.length() - from);
            int[] n = new int[4];
            for (int k = 0; k < many; k++) {
                n[k / 2] |= text.charAt(from + k) << (k % 2 == 0 ? 16 : 0);
            }
            x.put(many, n[0], n[1], n[2], n[3]);
        }
    }

    private static String text(MailWords x) {
        StringBuilder s = new StringBuilder();
        for (int k = 0; x.at(k) != MailWords.NONE; k++) {
            s.append((char) x.at(k));
        }
        return s.toString();
    }

    private static String paged(String page) {
        MailWords x = of(page);
        int size = x.page();
        String text = text(x);
        due("page() of " + page + " and its length", size, text.length());
        return text;
    }

    private static void page(String page, String want) {
        due("page() of " + page, paged(page), want);
    }

    private static String word(MailWords x, int token, boolean stem) {
        StringBuilder s = new StringBuilder();
        for (int k = 0; x.letter(token, stem, k) != MailWords.NONE; k++) {
            s.append((char) x.letter(token, stem, k));
        }
        due("the length of token " + token, x.token(token, stem ? 2 : 1), s.length());
        return s.toString();
    }

    /** All tokens, each as place:word, with a * behind an ADDRESS. */
    private static String tokens(MailWords x, int count) {
        StringBuilder s = new StringBuilder();
        for (int t = 0; t < count; t++) {
            s.append(t == 0 ? "" : " ").append(x.token(t, 0)).append(':').append(word(x, t, false));
            s.append(x.token(t, 3) == 1 ? "*" : "");
        }
        due("token behind the last", x.token(count, 0), MailWords.NONE);
        return s.toString();
    }

    private static void cut(String text, boolean plain, String want) {
        MailWords x = of(text);
        due("cut(" + plain + ") of " + text, tokens(x, x.cut(plain)), want);
    }

    private static void stem(String word, String want) {
        MailWords x = of(word);
        x.cut(false);
        due("the stem of " + word, word(x, 0, true), want);
    }

    /** All lines, each as depth, s for SIGNED, l for LED, beginning and length. */
    private static String lines(MailWords x, int count) {
        StringBuilder s = new StringBuilder();
        for (int k = 0; k < count; k++) {
            s.append(k == 0 ? "" : " ").append(x.line(k, 0)).append(x.line(k, 1) == 1 ? "s" : "");
            s.append(x.line(k, 2) == 1 ? "l" : "").append('@').append(x.line(k, 3)).append('+').append(x.line(k, 4));
        }
        return s.toString();
    }

    private static void lines(String text, String want) {
        MailWords x = of(text);
        due("lines() of " + text, lines(x, x.lines()), want);
    }

    private static String repeat(String s, int times) {
        return s.repeat(times);
    }

    private static void promise1NewObject() {
        MailWords x = new MailWords();
        due("at(0) of a new object", x.at(0), -1);
        due("line(0, 0) of a new object", x.line(0, 0), -1);
        due("token(0, 0) of a new object", x.token(0, 0), -1);
        due("letter(0, false, 0) of a new object", x.letter(0, false, 0), -1);
        due("different() of a new object", x.different(), 0);
        due("often(0) of a new object", x.often(0), 0);
        due("lines() of no text", x.lines(), 0);
        due("page() of no text", x.page(), 0);
        due("cut(false) of no text", x.cut(false), 0);
        due("cut(true) of no text", x.cut(true), 0);
        due("put(0) on a new object", x.put(0, 1, 2, 3, 4), 0);
        due("NONE", MailWords.NONE, -1);
    }

    private static void promise2Put() {
        MailWords x = new MailWords();
        due("put(8)", x.put(8, 0x00410042, 0x00430044, 0x00450046, 0x00470048), 8);
        due("the text", text(x), "ABCDEFGH");
        due("put(3)", x.put(3, 0xFFFF8000, 0x00010002, 7, 7), 11);
        due("a higher half with its sign", x.at(8), 0xFFFF);
        due("a lower half", x.at(9), 0x8000);
        due("the third", x.at(10), 1);
        due("behind the third", x.at(11), -1);
        due("put(-1)", x.put(-1, 0, 0, 0, 0), -1);
        due("put(9)", x.put(9, 0, 0, 0, 0), -1);
        due("put(least)", x.put(Integer.MIN_VALUE, 0, 0, 0, 0), -1);
        due("put(most)", x.put(Integer.MAX_VALUE, 0, 0, 0, 0), -1);
        due("put(0)", x.put(0, 0, 0, 0, 0), 11);
        due("character 0 comes too", x.put(1, 5, 0, 0, 0), 12);
        due("character 0", x.at(11), 0);

        MailWords full = of(repeat("abc", 499));
        due("put(2) near the end", full.put(2, 0x00610062, 0, 0, 0), 1499);
        due("put(8) over the end", full.put(8, 0x00780079, 0, 0, 0), 1500);
        due("the last", full.at(1499), (int) 'x');
        due("behind the last", full.at(1500), -1);
        due("put(8) at the end", full.put(8, 0, 0, 0, 0), 1500);
        due("put(9) at the end", full.put(9, 0, 0, 0, 0), -1);
    }

    private static void promise3Clear() {
        MailWords x = of("One two\n> three");
        x.cut(false);
        x.lines();
        x.clear();
        due("at(0) behind clear", x.at(0), -1);
        due("put behind clear", x.put(1, 0x00610000, 0, 0, 0), 1);
        due("the tokens of the latest cut stay", tokens(x, 3), "0:one 1:two 2:three");
        due("the lines of the latest lines() stay", lines(x, 2), "0@0+7 1@8+7");
        due("cut behind clear", x.cut(false), 1);
        due("lines behind clear", x.lines(), 1);
        due("line 1 is gone", x.line(1, 0), -1);
    }

    private static void promise4PageTags() {
        page("plain", "plain");
        page("a<b>c</b>d", "acd");
        page("a<P>b</p >c<Br/>d", "a\nb\nc\nd");
        for (String name : "p div br tr li ul ol table blockquote h1 h2 h3 h4 h5 h6 pre hr".split(" ")) {
            page("a<" + name + ">b", "a\nb");
            page("a</" + name.toUpperCase() + ">b", "a\nb");
            page("a<" + name + "x>b", "ab");
        }
        page("a<h0>b<h7>c<h>d<hrr>e<h11>f", "abcdef");
        page("<table><tr><td>a</td><td>b</td><th>c</TH>d", "a b c d");
        page("a <td> b", "a b");
        page("1 < 2 <3> </ p> <", "1 < 2 <3> </ p> <");
        page("a</4>b", "a</4>b");
        page("a<b", "a");
        page("a<p", "a\n");
        page("a<\u00e9>b", "a<\u00e9>b");
        page("a<p\u00e9>b", "a\nb");
        page("a<p-x>b<p1>c", "a\nbc");
        page("a<b x=\">\">c", "ac");
        page("a<b x = \n'>\"'>c", "ac");
        page("a<b x\">\">c", "a\">c");
        page("a<b x='\">y", "a");
        page("a<b x=y\">\"c", "a\"c");
        page("a<b x=\"1\"\">\"c", "a\"c");
        page("a<b x=\"1\"=\">\">c", "ac");
        page("a</b x='>'>c", "ac");
        page("a<!-- <p> > -- > -->b<!doctype x>c<?xml ?>d", "abcd");
        page("a<!-->b-->c", "ac");
        page("a<!--b", "a");
        page("a<!b", "a");
        page("a<?b", "a");
        page("a<!>b<?>c", "abc");
        page("a<! x='>'>b", "a'>b");
        page("<<p>", "<\n");
        page("a<A>b<Z>c<z>d<[>e<{>f<@>g<`>h", "abcd<[>e<{>f<@>g<`>h");
    }

    private static void promise4PageHidden() {
        page("a<script>b<p></script>c", "ac");
        page("a<SCRIPT x='>'>b</Script y='>'>c", "ac");
        page("a<style>b</styles></style1></style\u00e9></script></style/>c", "ac");
        page("a<title>b</title", "a");
        page("a<title>b</ title>c", "a");
        page("a<title>b", "a");
        page("a</title>b</script>c</style>d", "abcd");
        page("a<titles>b", "ab");
        page("a<title><!-- </title>b", "ab");
        page("a <title> b </title> c", "a c");
    }

    private static void promise4PageEntities() {
        page("&amp;&lt;&gt;&quot;&apos;x&nbsp;&eacute;&ouml;&auml;&uuml;&szlig;&euro;&copy;",
            "&<>\"'x \u00e9\u00f6\u00e4\u00fc\u00df\u20ac\u00a9");
        page("&amp &lt.&gt,&quot-", "& <.>,\"-");
        page("&amp", "&");
        page("&ampx &amp1 &amp\u00e9 &Amp; &AMP; &am; &;&", "&ampx &amp1 &amp\u00e9 &Amp; &AMP; &am; &;&");
        page("&lt;p&gt;&amp;lt;&amplt;", "<p>&lt;&amplt;");
        page("&#65;&#65x&#x41;&#x41g&#X41;", "AAxAAg&#X41;");
        page("&#x4aB;&#x4Ab;", "\u04ab\u04ab");
        page("&#xF;&#xf&#xG;&#xFG", "\u000f\u000f&#xG;\u000fG");
        page("&#0;&#65535;&#65536;&#55295;&#55296;&#57343;&#57344;",
            "\ufffd\uffff\ufffd\ud7ff\ufffd\ufffd\ue000");
        page("&#0000065;&#00000065;&#9999999;", "A&#00000065;\ufffd");
        page("&#x000041;&#x0000041;&#xffffff;&#x0;", "A&#x0000041;\ufffd\ufffd");
        page("&#;&#x;&#xg;&#a;&#", "&#;&#x;&#xg;&#a;&#");
        page("&#65", "A");
        page("&#6<b>5;", "\u00065;");
        page("&am<b>p;", "&amp;");
    }

    private static void promise4PageBlanks() {
        page("  a \t\r\n b  ", "a b");
        page("a<br> b <br> <br>\nc ", "a\nb\nc");
        page("<p> <p>a", "a");
        page("&nbsp;a&nbsp; &nbsp;b", " a  b");
        page("a&nbsp; &#32;<p>b&nbsp;&nbsp;", "a\nb");
        page("&nbsp;<p>a<p>&nbsp;<p>b", "a\nb");
        page("a&#10; b&#10;<p>c", "a\nb\nc");
        page("a &#10;b", "a \nb");
        page("a&#9; b&#9;<p>c", "a\t b\t\nc");
        page("a&#13; b", "a\r b");
        page("a<i> </i> b", "a b");
        page("a\u00a0 b", "a\u00a0 b");
        page("a<p>", "a\n");
        page("a<p> ", "a\n");
    }

    private static void promise4PagePre() {
        page("a  <pre> b \t\r\n  c</pre>  d", "a\n b \t\n  c\nd");
        page("<pre>a  <br>b\n<br>c</pre>", "a  \nb\nc\n");
        page("<pre>a \n</pre>b", "a \nb");
        page("<pre>a  </pre>b", "a\nb");
        page("<pre>a  ", "a  ");
        page("<pre>  ", "  ");
        page("<pre><pre>a  b</pre>c  d</pre>", "a  b\nc d\n");
        page("<PRE>a  b</Pre x>c  d", "a  b\nc d");
        page("</pre>a  b", "a b");
        page("<pre>a<td>  b&nbsp;<p>c", "a   b \nc");
        page("<pre>a<script> </pre> </script>  b", "a  b");
        page("<prex>a  b", "a b");
    }

    private static void promise4PageStays() {
        MailWords x = of("<p>one two");
        x.cut(false);
        x.lines();
        due("page()", x.page(), 7);
        due("tokens stay as cut", tokens(x, 3), "0:p 1:one 2:two");
        due("lines stay as looked at", lines(x, 1), "0@0+10");
        due("page() of what page() gave", x.page(), 7);
        add(x, "!");
        due("put behind page()", text(x), "one two!");
        MailWords again = of("&amp;lt;");
        again.page();
        due("a second page()", again.page(), 1);
        due("the second text", text(again), "<");
        MailWords full = of(repeat("<p>ab", 300));
        due("page() of a full text", full.page(), 899);
    }

    private static void promise5At() {
        MailWords x = of("ab\u0000\uffff");
        due("at(0)", x.at(0), (int) 'a');
        due("at(2)", x.at(2), 0);
        due("at(3)", x.at(3), 65535);
        due("at(4)", x.at(4), -1);
        due("at(-1)", x.at(-1), -1);
        due("at(least)", x.at(Integer.MIN_VALUE), -1);
        due("at(most)", x.at(Integer.MAX_VALUE), -1);
    }

    private static void promise6Lines() {
        lines("", "");
        lines("a", "0@0+1");
        lines("a\n", "0@0+1");
        lines("\n", "0@0+0");
        lines("\n\na", "0@0+0 0@1+0 0@2+1");
        lines("a\r\nb\rc", "0@0+2 0@3+3");
        MailWords x = of(repeat("\n", 1500));
        due("lines() of ends alone", x.lines(), 1500);
        due("the last line begins", x.line(1499, 3), 1499);
        due("the last line's length", x.line(1499, 4), 0);
        due("behind the last line", x.line(1500, 4), -1);
        due("lines() of one line", of(repeat(">", 1500)).lines(), 1);
    }

    private static void promise7Line() {
        lines(">a\n > > >b>c\n>\t>\n\t>\na>\n> ", "1@0+2 3@3+9 1@13+3 0@17+2 0@20+2 1@23+2");
        lines("--\na\n\n>b\nc", "0s@0+2 0s@3+1 0s@5+0 1@6+2 0@9+1");
        lines("-- \n--\n> --\n--", "0s@0+3 0s@4+2 1@7+4 0s@12+2");
        lines("--  \n---\n -- \n-\n--\r\n-- x", "0@0+4 0@5+3 0@9+4 0@14+1 0@16+3 0@20+4");
        lines("joe wrote:\n>a", "0l@0+10 1@11+2");
        lines("joe schrieb:\n > a", "0l@0+12 1@13+4");
        lines("j@:\n>a", "0l@0+3 1@4+2");
        lines("wrote:\n>a", "0l@0+6 1@7+2");
        lines("joe wrote:\na\n>", "0@0+10 0@11+1 1@13+1");
        lines("joe wrote:\n\n>", "0@0+10 0@11+0 1@12+1");
        lines("joe wrote: \n>", "0@0+11 1@12+1");
        lines("joe wrote\n>", "0@0+9 1@10+1");
        lines("joe said:\n>", "0@0+9 1@10+1");
        lines("joe rewrote:\n>", "0@0+12 1@13+1");
        lines("joe wrotes schrieben:\n>", "0@0+21 1@22+1");
        lines("joe wrote:", "0@0+10");
        lines("joe wrote:\n", "0@0+10");
        lines("> joe wrote:\n>> a", "1l@0+12 2@13+4");
        lines("--\njoe wrote:\n> a", "0s@0+2 0sl@3+10 1@14+3");
        lines(":\n>", "0@0+1 1@2+1");

        MailWords x = of("> a\nb");
        due("line(0, 0) ahead of lines()", x.line(0, 0), -1);
        x.lines();
        for (int what : new int[] {-1, 5, Integer.MIN_VALUE, Integer.MAX_VALUE}) {
            due("line(0, " + what + ")", x.line(0, what), -1);
        }
        for (int line : new int[] {-1, 2, Integer.MIN_VALUE, Integer.MAX_VALUE}) {
            due("line(" + line + ", 0)", x.line(line, 0), -1);
        }
        add(x, "\nc\nd");
        x.cut(true);
        due("line(1, 4), by the latest lines()", x.line(1, 4), 1);
        due("line(2, 4), by the latest lines()", x.line(2, 4), -1);
        due("lines() again", x.lines(), 4);
        due("line(3, 3) now", x.line(3, 3), 8);
    }

    private static void promise8Cut() {
        cut("", false, "");
        cut(" .-!", false, "");
        cut("One, TWO;three", false, "0:one 1:two 2:three");
        cut("a'b c_d e-f", false, "0:a 1:b 2:c 3:d 4:e 5:f");
        cut("a.b", false, "0:a 0:a.b* 1:b");
        cut("a@1", false, "0:a 0:a@1* 1:1");
        cut("1.2 a.1 1.a a1.b", false, "0:1 1:2 2:a 3:1 4:1 5:a 6:a1 7:b");
        cut("1.2.a.b", false, "0:1 0:1.2.a.b* 1:2 2:a 3:b");
        cut("a-b.c x", false, "0:a 0:a-b.c* 1:b 2:c 3:x");
        cut("a..b a.-b 'a' a. .b a@", false, "0:a 1:b 2:a 3:b 4:a 5:a 6:b 7:a");
        cut("\u00e9.\u0436", false, "0:\u00e9 0:\u00e9.\u0436* 1:\u0436");
        cut(repeat("x", 31) + " y", false, "0:" + repeat("x", 30) + " 1:y");
        cut(repeat("A", 29) + ".Bc" + repeat("d", 40), false,
            "0:" + repeat("a", 29) + " 0:" + repeat("a", 29) + ".* 1:bc" + repeat("d", 28));
        cut("a\n>b\n c", false, "0:a 1:b 2:c");
        cut("a\n>b\n c", true, "0:a 1:c");
        cut("a\nj@x wrote:\n> b\nc\n-- \nd\n> e\nf", true, "0:a 1:c 2:f");
        cut("j@x.y wrote:\nb", true, "0:j 0:j@x.y* 1:x 2:y 3:wrote 4:b");
        cut(">a\n--\nb", true, "");
    }

    private static void promise8CutMany() {
        MailWords x = of(repeat("a ", 310));
        due("cut of 310 rows", x.cut(false), 300);
        due("the last place", x.token(299, 0), 299);
        due("behind it", x.token(300, 0), -1);
        due("often", x.often(299), 300);

        MailWords y = of(repeat("a ", 299) + "b.c.d e f");
        due("a row of many that begins at place 299", y.cut(false), 303);
        due("its address", y.token(300, 3), 1);
        due("its last place", y.token(302, 0), 301);

        MailWords z = of(repeat("a-b ", 150) + "c");
        due("no row begins at place 300", z.cut(false), 300);

        MailWords lines = of(repeat("a ", 299) + "\n>q\nb-c\nd\ne");
        due("nor on a later line", lines.cut(true), 301);

        MailWords all = of(repeat("a.b ", 149) + repeat("c.", 452));
        due("as many tokens as there may be", all.cut(false), 900);
        due("the last one's place", all.token(899, 0), 749);
        due("the last one's beginning", all.token(899, 4), 1498);
        due("how many different", all.different(), 3);
        due("how often c", all.often(899), 452);
        due("how often the address c.c.c..", all.often(448), 0);
    }

    private static void promise8CutLettersOfAllKinds() {
        String apart = "\u0000/:[`{\u00bf\u00d7\u00f7\u02b0\u036f\u037e\u0387\u0482\u0489\u0590\uffff";
        for (char c : apart.toCharArray()) {
            cut("" + c, false, "");
        }
        String within = "azAZ09\u00df\u00ff\u0149\u02af\u0370\u037f\u0386\u0390\u03a2\u0481\u048a\u04c0\u058f";
        for (char c : within.toCharArray()) {
            due("cut of " + c, of("" + c).cut(false), 1);
        }
    }

    private static void promise9Token() {
        MailWords x = of("Ho, joe@x.org Hoping");
        due("cut", x.cut(false), 6);
        int[][] want = {{0, 2, 2, 0, 0}, {1, 3, 3, 0, 4}, {1, 9, 9, 1, 4}, {2, 1, 1, 0, 8}, {3, 3, 3, 0, 10},
            {4, 6, 4, 0, 14}};
        for (int t = 0; t < want.length; t++) {
            for (int what = 0; what < 5; what++) {
                due("token(" + t + ", " + what + ")", x.token(t, what), want[t][what]);
            }
        }
        for (int what : new int[] {-1, 5, Integer.MIN_VALUE, Integer.MAX_VALUE}) {
            due("token(0, " + what + ")", x.token(0, what), -1);
        }
        for (int token : new int[] {-1, 6, Integer.MIN_VALUE, Integer.MAX_VALUE}) {
            due("token(" + token + ", 0)", x.token(token, 0), -1);
        }
        x.clear();
        add(x, "zzz");
        due("a token's letter behind a change of the text", x.letter(5, false, 0), (int) 'h');
        due("cut anew", x.cut(true), 1);
        due("token(1, 0) is gone", x.token(1, 0), -1);
        MailWords plain = of("> a\n b");
        plain.cut(true);
        due("where a token of a plain cut begins", plain.token(0, 4), 5);
        due("its place", plain.token(0, 0), 0);
    }

    private static void promise10Letter() {
        MailWords x = of("HAPPY a.B");
        x.cut(false);
        due("the word", word(x, 0, false), "happy");
        due("its stem", word(x, 0, true), "happi");
        due("an address", word(x, 2, false), "a.b");
        due("an address's stem", word(x, 2, true), "a.b");
        due("letter(0, false, 5)", x.letter(0, false, 5), -1);
        due("letter(0, true, -1)", x.letter(0, true, -1), -1);
        due("letter(0, true, most)", x.letter(0, true, Integer.MAX_VALUE), -1);
        due("letter(4, false, 0)", x.letter(4, false, 0), -1);
        due("letter(-1, true, 0)", x.letter(-1, true, 0), -1);
        due("letter(least, true, least)", x.letter(Integer.MIN_VALUE, true, Integer.MIN_VALUE), -1);
    }

    private static void promise10Small() {
        int[][] pairs = {{'A', 'a'}, {'Z', 'z'}, {192, 224}, {214, 246}, {216, 248}, {222, 254}, {223, 223},
            {255, 255}, {256, 257}, {257, 257}, {304, 305}, {310, 311}, {311, 311}, {312, 312}, {313, 314},
            {314, 314}, {327, 328}, {328, 328}, {329, 329}, {330, 331}, {374, 375}, {375, 375}, {376, 255},
            {377, 378}, {378, 378}, {381, 382}, {382, 382}, {383, 383}, {384, 384}, {385, 385}, {880, 880},
            {902, 940}, {904, 941}, {906, 943}, {907, 907}, {908, 972}, {909, 909}, {910, 973}, {911, 974},
            {912, 912}, {913, 945}, {929, 961}, {930, 930}, {931, 963}, {939, 971}, {940, 940}, {1023, 1023},
            {1024, 1104}, {1039, 1119}, {1040, 1072}, {1071, 1103}, {1072, 1072}, {1119, 1119}, {1120, 1121},
            {1121, 1121}, {1152, 1153}, {1153, 1153}, {1162, 1163}, {1214, 1215}, {1215, 1215}, {1216, 1216},
            {1423, 1423}};
        for (int[] pair : pairs) {
            MailWords x = of("" + (char) pair[0]);
            x.cut(false);
            due("small of " + pair[0], x.letter(0, false, 0), pair[1]);
        }
    }

    private static void promise10Stem() {
        String[] pairs = ("caresses:caress ponies:poni ties:ti caress:caress cats:cat feed:feed agreed:agre "
            + "plastered:plaster bled:bled motoring:motor sing:sing conflated:conflat troubled:troubl "
            + "sized:size hopping:hop tanned:tan falling:fall hissing:hiss fizzed:fizz failing:fail "
            + "filing:file happy:happi sky:sky relational:relat conditional:condit rational:ration "
            + "valenci:valenc hesitanci:hesit digitizer:digit conformabli:conform radicalli:radic "
            + "differentli:differ vileli:vile analogousli:analog vietnamization:vietnam predication:predic "
            + "operator:oper feudalism:feudal decisiveness:decis hopefulness:hope callousness:callous "
            + "formaliti:formal sensitiviti:sensit sensibiliti:sensibl triplicate:triplic formative:form "
            + "formalize:formal electriciti:electr electrical:electr hopeful:hope goodness:good "
            + "revival:reviv allowance:allow inference:infer airliner:airlin gyroscopic:gyroscop "
            + "adjustable:adjust defensible:defens irritant:irrit replacement:replac adjustment:adjust "
            + "dependent:depend adoption:adopt homologou:homolog communism:commun activate:activ "
            + "angulariti:angular homologous:homolog effective:effect bowdlerize:bowdler probate:probat "
            + "rate:rate cease:ceas controll:control roll:roll yyy:yyi ies:i ing:ing eed:eed sses:ss "
            + "as:as is:is playing:plai saying:sai boxing:box snowing:snow trying:try enjoyed:enjoi "
            + "yes:ye toy:toi syzygy:syzygi station:station champion:champion cement:cement element:element "
            + "national:nation ational:ation abli:abli activated:activ adjustabled:adjust organized:organ "
            + "oblivion:oblivion extension:extens agreement:agreement egged:eg adding:ad").split(" ");
        for (String pair : pairs) {
            stem(pair.substring(0, pair.indexOf(':')), pair.substring(pair.indexOf(':') + 1));
        }
        stem("CATS", "cat");
        stem("cats1", "cats1");
        stem("caf\u00e9s", "caf\u00e9s");
        // The word is its first 30 letters, and the last of them is one s.
        stem(repeat("a", 26) + "ing" + "sssss", repeat("a", 26));
    }

    private static void promise11Different() {
        MailWords x = of("cat Cats cat's a.b cat.s");
        x.cut(false);
        due("tokens", tokens(x, 10), "0:cat 1:cats 2:cat 3:s 4:a 4:a.b* 5:b 6:cat 6:cat.s* 7:s");
        due("different()", x.different(), 4);
        x.clear();
        due("different() behind clear", x.different(), 4);
        x.cut(false);
        due("different() of nothing", x.different(), 0);
        StringBuilder many = new StringBuilder();
        for (int k = 0; k < 250; k++) {
            many.append(100 + k).append(' ');
        }
        MailWords y = of(many.toString());
        y.cut(false);
        due("250 different", y.different(), 250);
    }

    private static void promise12Often() {
        MailWords x = of("cat Cats cat's a.b cat.s");
        x.cut(false);
        int[] want = {4, 4, 4, 2, 1, 0, 1, 4, 0, 2};
        for (int t = 0; t < want.length; t++) {
            due("often(" + t + ")", x.often(t), want[t]);
        }
        due("often(-1)", x.often(-1), 0);
        due("often(10)", x.often(10), 0);
        due("often(least)", x.often(Integer.MIN_VALUE), 0);
        due("often(most)", x.often(Integer.MAX_VALUE), 0);
        MailWords y = of(repeat("7", 30) + "@x");
        y.cut(false);
        due("often of an address that is cut off to its first piece", y.often(1), 1);
    }

    public static void main(String[] args) {
        promise1NewObject();
        promise2Put();
        promise3Clear();
        promise4PageTags();
        promise4PageHidden();
        promise4PageEntities();
        promise4PageBlanks();
        promise4PagePre();
        promise4PageStays();
        promise5At();
        promise6Lines();
        promise7Line();
        promise8Cut();
        promise8CutMany();
        promise8CutLettersOfAllKinds();
        promise9Token();
        promise10Letter();
        promise10Small();
        promise10Stem();
        promise11Different();
        promise12Often();
        System.out.println(asked + " answers asked for, " + wrong + " not as due");
        if (wrong != 0) {
            System.exit(1);
        }
    }
}
