import java.lang.reflect.Field;
import java.lang.reflect.Method;
import java.lang.reflect.Modifier;
import java.nio.file.Files;
import java.nio.file.Path;
import java.util.Arrays;
import java.util.HashSet;
import java.util.List;
import java.util.Set;
import java.util.TreeSet;
import java.util.regex.Matcher;
import java.util.regex.Pattern;

/** The public face of the document, and what can be seen of the rules of LANGUAGE.md. */
public final class FaceTest {
    private static final Check check = new Check("FaceTest");

    private static final String FACE = "int house(int,int,int); int person(int,int,int,int); boolean road(int,int,int);"
            + " boolean feud(int,int,boolean); int harvest(int,int); int parent(int,int,int); int heard(int,int);"
            + " boolean die(int); int year(); int kin(int,int,int,int); int chain(int,int,int,int,int); int tell(int,int);"
            + " int about(int,int); int feed(int,int,int,int,int); int end(int); int text(int); int fault(int);"
            + " int read(int,int,int,int); boolean may(int,int); int liking(int,int); int ask(int,int);"
            + " boolean promise(int); boolean wed(int); boolean breaks(int,boolean); int match(int,int); int late(int);"
            + " int parts(int); int best(int); int bestFor(int); int stable(int); int ring(int); int ringed(int,int);"
            + " int count(int); boolean image(int); boolean again(int)";

    public static void main(String[] args) throws Exception {
        face();
        faceOfDocument();
        classes();
        source();
        check.finish();
    }

    private static String signature(Method m) {
        StringBuilder text = new StringBuilder(m.getReturnType() + " " + m.getName() + "(");
        for (Class<?> type : m.getParameterTypes()) {
            text.append(text.charAt(text.length() - 1) == '(' ? "" : ",").append(type);
        }
        return text.append(")").toString();
    }

    private static void face() {
        Set<String> want = new TreeSet<>(Arrays.asList(FACE.split("; ")));
        Set<String> got = new TreeSet<>();
        Set<String> open = new HashSet<>();
        for (Method m : MatchBook.class.getDeclaredMethods()) {
            if (!Modifier.isPrivate(m.getModifiers())) {
                got.add(signature(m));
                open.add(m.getName());
                check.due("public " + m, Modifier.isPublic(m.getModifiers()), true);
            }
        }
        check.due("methods " + got, got.equals(want), true);
        for (Class<?> c : all()) {
            for (Method m : c.getDeclaredMethods()) {
                if (Modifier.isPrivate(m.getModifiers())) {
                    check.due("private " + m, open.contains(m.getName()), false);
                }
                check.due("parameters of " + m, m.getParameterCount() <= 7, true);
            }
        }
        for (Field f : MatchBook.class.getDeclaredFields()) {
            check.due("field " + f, Modifier.isPrivate(f.getModifiers()), !f.getName().equals("NONE"));
        }
        check.due("constructors", MatchBook.class.getDeclaredConstructors().length, 1);
        check.due("final", Modifier.isFinal(MatchBook.class.getModifiers()), true);
    }

    /** The face that is tested here is that of the document, and no older one. */
    private static void faceOfDocument() throws Exception {
        String document = Files.readString(Path.of("../shared/DOC.md"));
        int from = document.indexOf("## The public face");
        String block = document.substring(from, document.indexOf("## Terms", from));
        Set<String> told = new TreeSet<>();
        Matcher lines = Pattern.compile("public (int|boolean) (\\w+)\\(([^)]*)\\);").matcher(block);
        while (lines.find()) {
            String types = lines.group(3).replaceAll("(int|boolean) \\w+", "$1").replace(", ", ",");
            told.add(lines.group(1) + " " + lines.group(2) + "(" + types + ")");
        }
        check.due("face of the document " + told, told.equals(new TreeSet<>(Arrays.asList(FACE.split("; ")))), true);
        check.due("NONE of the document", block.contains("NONE = " + MatchBook.NONE + ";"), true);
    }

    private static List<Class<?>> all() {
        List<Class<?>> all = new java.util.ArrayList<>(Arrays.asList(MatchBook.class.getDeclaredClasses()));
        all.add(MatchBook.class);
        return all;
    }

    private static void classes() {
        check.due("how many classes", all().size() <= 12, true);
        for (Class<?> c : all()) {
            int fields = 0;
            for (Field f : c.getDeclaredFields()) {
                if (Modifier.isStatic(f.getModifiers())) {
                    check.due("static " + f, Modifier.isFinal(f.getModifiers()), true);
                } else {
                    fields++;
                }
            }
            check.due("fields of " + c, fields <= 20, true);
            check.due("static or the face " + c, c == MatchBook.class || Modifier.isStatic(c.getModifiers()), true);
            check.due("no class inside of " + c, c == MatchBook.class || c.getDeclaredClasses().length == 0, true);
        }
    }

    private static void source() throws Exception {
        String text = Files.readString(Path.of("src/main/java/MatchBook.java"));
        String code = text.replaceAll("(?s)/\\*.*?\\*/", "").replaceAll("//[^\n]*", "").replaceAll("\"[^\"\n]*\"", "\"\"");
        for (String word : "throw try catch synchronized assert var record volatile transient native".split(" ")) {
            check.due("word " + word, Pattern.compile("\\b" + word + "\\b").matcher(code).find(), false);
        }
        check.due("->", code.contains("->"), false);
        check.due("::", code.contains("::"), false);
        check.due("%", code.contains(" % "), false);
        Matcher imports = Pattern.compile("import ([^;]+);").matcher(code);
        while (imports.find()) {
            check.due("import " + imports.group(1), imports.group(1).equals("java.util.Arrays"), true);
        }
        Matcher library = Pattern.compile("\\b(Arrays|System|Math|Integer)\\.(\\w+)").matcher(code);
        Set<String> allowed = Set.of("Arrays.fill", "System.arraycopy", "Math.min", "Math.max", "Math.abs", "Integer.bitCount");
        while (library.find()) {
            check.due("library " + library.group(), allowed.contains(library.group()), true);
        }
        Matcher plain = Pattern.compile("[^\\x00-\\x7f]").matcher(text);
        check.due("plain signs", plain.find(), false);
        Matcher methods = Pattern.compile("(?m)^( {4}| {8})(?! )[^\n=;]*\\) \\{\n(?s:.*?)\n\\1\\}\n").matcher(text);
        int seen = 0;
        while (methods.find()) {
            seen++;
            int lines = methods.group().split("\n").length;
            check.due("length of " + methods.group().split("\n")[0].trim(), lines <= 60, true);
        }
        check.due("methods were seen: " + seen, seen > 100, true);
    }
}
