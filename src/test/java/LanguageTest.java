import java.io.IOException;
import java.lang.reflect.Field;
import java.lang.reflect.Method;
import java.lang.reflect.Modifier;
import java.nio.charset.StandardCharsets;
import java.nio.file.Files;
import java.nio.file.Path;
import java.util.Arrays;
import java.util.List;
import java.util.Set;
import java.util.TreeSet;
import java.util.regex.Matcher;
import java.util.regex.Pattern;

/** The face of the document, and those rules of LANGUAGE.md that can be seen from outside or in the text. */
public final class LanguageTest {
    private static final String SOURCE = "src/main/java/PittanceHouse.java";
    private static final String[] FACE = {
        "int come(int,boolean)", "int withdraw(int)", "int voice(int,int)", "int choose(int)", "int leave(int)",
        "int feast(int,int)", "int breach(int,int)", "int pardon(int)", "int gift(int)", "int weeks(int)",
        "int brotherOf(int,int)", "int broke(int,int)", "int inCell(int)", "int entitled()", "int entitledAgain()",
        "int voices(int)", "int voicesAgain(int)", "int ranked(int)", "int senior(int)", "int shabby(int)",
        "int nextFeast()", "int wouldGet(int,int)", "int chestIn(int)", "int append(int)", "int run()", "int tell()",
        "int tellWaiting()", "int character(int)", "int reason(boolean)", "int account(int)", "int isBalanced()",
        "double meanAge()", "float entitledShare()", "int undo()", "int save()", "int restore()"};
    private static final String[] CONSTANTS = {"NONE", "BAD", "FULL", "REFUSED", "NOTHING"};
    private static final String[] NOT_IN_THE_TEXT = {"->", "::", "\\bimport\\b", "\\bpackage\\b", "\\btry\\b", "\\bcatch\\b",
        "\\bthrows?\\b", "\\bfinally\\b", "\\bsynchronized\\b", "\\bassert\\b", "Exact\\b", "\\bvar\\b", "\\bprotected\\b",
        "\" *\\+", "\\+ *\"", "\\bSystem\\.(?!arraycopy)", "\\bMath\\.(?!min\\b|max\\b)", "\\bequals\\b", "\\bhashCode\\b",
        "\\btoString\\b", "\\bString\\.", "\\bInteger\\b", "\\bObject\\b"};
    private static int wrong = 0;

    private static void must(boolean holds, String what) {
        if (!holds) {
            wrong++;
            System.out.println("broken: " + what);
        }
    }

    private static Set<String> names() {
        Set<String> names = new TreeSet<>();
        for (String method : FACE) {
            names.add(method.substring(method.indexOf(' ') + 1, method.indexOf('(')));
        }
        return names;
    }

    private static String signature(Method m) {
        StringBuilder s = new StringBuilder(m.getReturnType() + " " + m.getName() + "(");
        for (Class<?> p : m.getParameterTypes()) {
            s.append(s.charAt(s.length() - 1) == '(' ? "" : ",").append(p);
        }
        return s.append(')').toString();
    }

    private static void face() {
        Class<?> c = PittanceHouse.class;
        must(Modifier.isPublic(c.getModifiers()) && Modifier.isFinal(c.getModifiers()), "a public final class");
        must(c.getDeclaredConstructors().length == 1 && c.getConstructors().length == 1
                && c.getConstructors()[0].getParameterCount() == 0, "one public constructor");
        Set<String> found = new TreeSet<>();
        for (Method m : c.getDeclaredMethods()) {
            if (Modifier.isPrivate(m.getModifiers())) {
                must(!names().contains(m.getName()), "a private method bears the public name " + m.getName());
            } else {
                found.add(signature(m));
                must(m.getModifiers() == Modifier.PUBLIC, "a plain public method: " + m);
            }
        }
        must(found.equals(new TreeSet<>(Arrays.asList(FACE))), "the methods of the face: " + found);
        for (Field f : c.getDeclaredFields()) {
            boolean isConstant = Arrays.asList(CONSTANTS).contains(f.getName());
            must(isConstant == Modifier.isPublic(f.getModifiers()), "public: " + f);
            must(isConstant || Modifier.isPrivate(f.getModifiers()), "private: " + f);
        }
    }

    private static void classesInside() {
        Class<?>[] inside = PittanceHouse.class.getDeclaredClasses();
        must(inside.length < 12, "at most some twelve classes");
        for (Class<?> c : inside) {
            must(Modifier.isStatic(c.getModifiers()) && Modifier.isPrivate(c.getModifiers()), "private and static: " + c);
            for (Method m : c.getDeclaredMethods()) {
                must(!names().contains(m.getName()), c + " uses the public name " + m.getName());
            }
            fields(c);
        }
        fields(PittanceHouse.class);
    }

    private static void fields(Class<?> c) {
        int own = 0;
        for (Field f : c.getDeclaredFields()) {
            if (!Modifier.isStatic(f.getModifiers())) {
                own++;
            } else {
                must(Modifier.isFinal(f.getModifiers()) && f.getType() == int.class, "a static constant: " + f);
            }
        }
        must(own <= 20, "at most some twenty fields in " + c);
    }

    /** Code without comments; texts in quotes stay, since one rule looks at what stands beside them. */
    private static String withoutComments(String source) {
        return source.replaceAll("(?s)/\\*.*?\\*/", "").replaceAll("//[^\n]*", "");
    }

    private static void text() throws IOException {
        byte[] bytes = Files.readAllBytes(Path.of(SOURCE));
        for (byte b : bytes) {
            must(b > 0 && (b >= 32 || b == '\n'), "a sign outside 32 to 126: " + b);
        }
        String code = withoutComments(new String(bytes, StandardCharsets.US_ASCII));
        for (String pattern : NOT_IN_THE_TEXT) {
            Matcher m = Pattern.compile(pattern).matcher(code);
            must(!m.find(), "in the text: " + pattern);
        }
    }

    /** A method's first line ends with " {" and its last one is a brace as deep as the first begins. */
    private static void methodsAreShort() throws IOException {
        List<String> lines = Files.readAllLines(Path.of(SOURCE), StandardCharsets.US_ASCII);
        Pattern head = Pattern.compile("^( {4}| {8})(?=\\w)(?!.*\\bclass\\b)[\\w ]+[\\w\\[\\]]+ ?\\w*\\(([^()]*)\\) \\{$");
        int methods = 0;
        for (int i = 0; i < lines.size(); i++) {
            Matcher m = head.matcher(lines.get(i));
            if (!m.matches() || lines.get(i).matches(" *(if|for|while|switch|return) .*")) {
                continue;
            }
            methods++;
            int end = i;
            while (end < lines.size() && !lines.get(end).equals(m.group(1) + "}")) {
                end++;
            }
            must(end - i < 60, "at most some sixty lines: " + lines.get(i));
            must(m.group(2).split(",").length <= 7, "at most seven parameters: " + lines.get(i));
        }
        must(methods > FACE.length, "the methods are seen");
    }

    public static void main(String[] args) throws IOException {
        face();
        classesInside();
        text();
        methodsAreShort();
        System.out.println(wrong == 0 ? "face and language are kept" : wrong + " rules are broken");
        if (wrong != 0) {
            System.exit(1);
        }
    }
}
