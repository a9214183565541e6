import java.io.IOException;
import java.lang.reflect.Array;
import java.lang.reflect.Constructor;
import java.lang.reflect.Field;
import java.lang.reflect.Method;
import java.lang.reflect.Modifier;
import java.nio.file.Files;
import java.nio.file.Path;
import java.util.ArrayList;
import java.util.IdentityHashMap;
import java.util.List;
import java.util.Map;
import java.util.TreeSet;
import java.util.regex.Matcher;
import java.util.regex.Pattern;

/** The face, the size of an object, and those rules of LANGUAGE.md that can be seen in the file. */
public final class MailWordsRules {
    private static final String FACE = "at(int):int clear():void cut(boolean):int different():int "
        + "letter(int,boolean,int):int line(int,int):int lines():int often(int):int page():int "
        + "put(int,int,int,int,int):int token(int,int):int";
    /** 512 objects of this size fit into the room of 7.3 million. */
    private static final int MOST_ELEMENTS = 14000;
    private static final int MOST_METHOD_LINES = 60;

    private static int wrong = 0;

    private static void due(boolean right, String what) {
        if (!right) {
            wrong++;
            System.out.println("not as due: " + what);
        }
    }

    private static void lookAtFace() {
        TreeSet<String> names = new TreeSet<>();
        for (Method m : MailWords.class.getDeclaredMethods()) {
            StringBuilder s = new StringBuilder();
            for (Class<?> c : m.getParameterTypes()) {
                s.append(s.length() == 0 ? "" : ",").append(c.getName());
            }
            if (!Modifier.isPrivate(m.getModifiers())) {
                due(Modifier.isPublic(m.getModifiers()), m + " is public");
                names.add(m.getName() + "(" + s + "):" + m.getReturnType().getName());
            }
        }
        due(String.join(" ", names).equals(FACE), "the methods " + names);
        for (Field f : MailWords.class.getDeclaredFields()) {
            due(Modifier.isPrivate(f.getModifiers()) || f.getName().equals("NONE"), f + " is private");
        }
        Constructor<?>[] makers = MailWords.class.getDeclaredConstructors();
        due(makers.length == 1 && Modifier.isPublic(makers[0].getModifiers()), "one public constructor");
        due(Modifier.isFinal(MailWords.class.getModifiers()), "the class is final");
    }

    private static void lookAtClasses() {
        Class<?>[] classes = MailWords.class.getDeclaredClasses();
        due(classes.length < 12, "at most twelve classes");
        List<String> face = new ArrayList<>();
        for (Method m : MailWords.class.getMethods()) {
            face.add(m.getName());
        }
        for (Class<?> c : classes) {
            due(Modifier.isStatic(c.getModifiers()), c + " is static");
            int fields = 0;
            for (Field f : c.getDeclaredFields()) {
                boolean shared = Modifier.isStatic(f.getModifiers());
                due(!shared || Modifier.isFinal(f.getModifiers()), f + " is final");
                fields += shared ? 0 : 1;
            }
            due(fields <= 20, c + " has at most twenty fields");
            for (Method m : c.getDeclaredMethods()) {
                due(m.getParameterCount() <= 7, m + " takes at most seven");
                due(!face.contains(m.getName()), m + " has a name of its own");
            }
        }
    }

    /** How many fields and elements an object holds, with all that it refers to. */
    private static long sizeOf(Object x, Map<Object, Object> seen) throws IllegalAccessException {
        if (x == null || seen.put(x, x) != null) {
            return 0;
        }
        if (x.getClass().isArray()) {
            return Array.getLength(x);
        }
        long size = 0;
        for (Field f : x.getClass().getDeclaredFields()) {
            if (!Modifier.isStatic(f.getModifiers())) {
                f.setAccessible(true);
                size += 1 + (f.getType().isPrimitive() ? 0 : sizeOf(f.get(x), seen));
            }
        }
        return size;
    }

    private static void lookAtSize() throws IllegalAccessException {
        MailWords x = new MailWords();
        long size = sizeOf(x, new IdentityHashMap<>());
        due(size <= MOST_ELEMENTS, "an object holds " + size + " fields and elements");
        x.put(8, 0x00610062, 0x000a003e, 0x00610040, 0x00620063);
        x.lines();
        x.cut(true);
        x.page();
        due(size == sizeOf(x, new IdentityHashMap<>()), "an object grows");
    }

    private static void lookAtFile() throws IOException {
        String file = Files.readString(Path.of("src/main/java/MailWords.java"));
        String code = file.replaceAll("(?s)/\\*.*?\\*/", "").replaceAll("//[^\\n]*", "")
            .replaceAll("'(?:[^'\\\\]|\\\\.)'", "0").replaceAll("\"[^\"\\n]*+\"", "TEXT");
        String[] forbidden = {"\\b(throw|throws|try|catch|synchronized|assert|import|package|protected)\\b", "->", "::",
            "\\b(hashCode|toString|System\\.(?!arraycopy)|Math\\.\\w+Exact)\\b", "static\\s*\\{", "/(?!=)", "%"};
        for (String pattern : forbidden) {
            Matcher m = Pattern.compile(pattern).matcher(code);
            due(!m.find(), "the file has " + pattern);
        }
        due(file.chars().allMatch(c -> c < 128), "the file is plain ASCII");
        Matcher made = Pattern.compile("(?m)^.*\\bnew\\b.*$").matcher(code);
        while (made.find()) {
            due(made.group().matches("\\s*(private final .*|\\w+ = new .*|LineWalker walker = new .*)"),
                "an object made outside of a constructor: " + made.group());
        }
        int begun = 0;
        String[] rows = file.split("\n");
        for (int k = 0; k < rows.length; k++) {
            if (rows[k].matches("( {4}| {8})\\S.*\\) \\{")) {
                begun = k;
            }
            if (rows[k].matches("( {4}| {8})\\}")) {
                due(k - begun < MOST_METHOD_LINES || rows[k].startsWith("    }"), "a method is long: " + rows[begun]);
            }
        }
    }

    public static void main(String[] args) throws Exception {
        lookAtFace();
        lookAtClasses();
        lookAtSize();
        lookAtFile();
        System.out.println(wrong == 0 ? "all rules are kept" : wrong + " rules are not kept");
        if (wrong != 0) {
            System.exit(1);
        }
    }
}
