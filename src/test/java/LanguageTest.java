import java.io.IOException;
import java.lang.reflect.Constructor;
import java.lang.reflect.Field;
import java.lang.reflect.Method;
import java.lang.reflect.Modifier;
import java.nio.charset.StandardCharsets;
import java.nio.file.Files;
import java.nio.file.Path;
import java.util.ArrayList;
import java.util.Arrays;
import java.util.List;
import java.util.TreeSet;
import java.util.regex.Matcher;
import java.util.regex.Pattern;

/** The face of the class as the document has it, and those rules of LANGUAGE.md that can be seen from outside. */
public final class LanguageTest {
    private static final Check CHECK = new Check("LanguageTest");
    private static final String[] FACE = {
        "public int YearHands.feed(int,int,int,int,int)", "public int YearHands.end(int)", "public int YearHands.town()",
        "public int YearHands.fault(int)", "public int YearHands.person(int,int)", "public int YearHands.has(int,int)",
        "public int YearHands.odds(int)", "public int YearHands.sum(int)", "public int YearHands.give(int,int,int)",
        "public int YearHands.lend(int,int,int,int)", "public int YearHands.year()", "public boolean YearHands.undo()",
        "public boolean YearHands.redo()", "public int YearHands.loan(int,int)", "public int YearHands.target(int,int)",
        "public int YearHands.hush()", "public int YearHands.cheapest()", "public int YearHands.barred()",
        "public int YearHands.reach(int,int,int)", "public int YearHands.net(int)", "public int YearHands.payments()",
        "public int YearHands.ring()", "public int YearHands.market(int,int)", "public int YearHands.rests(int,int)",
        "public int YearHands.corner(int,int)", "public int YearHands.safest()", "public boolean YearHands.bends()",
        "public int YearHands.twice(int)", "public int YearHands.fair(int)", "public int YearHands.all(int,int)",
        "public int YearHands.lies(int)", "public int YearHands.face(int,int)", "public boolean YearHands.untell(int)",
        "public int YearHands.later(int)", "public int YearHands.explained(int)", "public int YearHands.sure(int,int)",
        "public int YearHands.forged(int)", "public int YearHands.image(int)", "public int YearHands.back(int)",
        "public int YearHands.about(int)"};

    public static void main(String[] args) throws IOException {
        face();
        inside();
        text();
        CHECK.finish();
    }

    private static void face() {
        List<String> found = new ArrayList<>();
        for (Method method : YearHands.class.getDeclaredMethods()) {
            if (!Modifier.isPrivate(method.getModifiers())) {
                found.add(method.toString());
            }
        }
        CHECK.due("the methods of the face", new TreeSet<>(found).equals(new TreeSet<>(Arrays.asList(FACE))), true);
        CHECK.due("how many they are", found.size(), FACE.length);
        Constructor<?>[] constructors = YearHands.class.getDeclaredConstructors();
        CHECK.due("constructors", constructors.length, 1);
        CHECK.due("its parameters", constructors[0].getParameterCount(), 0);
        CHECK.due("public and final", YearHands.class.getModifiers(), Modifier.PUBLIC | Modifier.FINAL);
        for (Field field : YearHands.class.getDeclaredFields()) {
            boolean constant = field.getName().equals("NONE") || field.getName().equals("GAP");
            CHECK.due(field + " is private, or of the face", Modifier.isPrivate(field.getModifiers()), !constant);
        }
    }

    private static void inside() {
        TreeSet<String> names = new TreeSet<>();
        for (String method : FACE) {
            names.add(method.replaceAll(".*\\.(\\w+)\\(.*", "$1"));
        }
        List<Class<?>> classes = new ArrayList<>(Arrays.asList(YearHands.class.getDeclaredClasses()));
        CHECK.due("twelve classes at most", classes.size() + 1 <= 12, true);
        for (Class<?> inner : classes) {
            CHECK.due(inner + " is static", Modifier.isStatic(inner.getModifiers()), true);
            CHECK.due(inner + " is not public", Modifier.isPublic(inner.getModifiers()), false);
        }
        classes.add(YearHands.class);
        for (Class<?> each : classes) {
            int fields = 0;
            for (Field field : each.getDeclaredFields()) {
                boolean constant = Modifier.isStatic(field.getModifiers());
                fields += constant ? 0 : 1;
                CHECK.due(field + ": static ones are final", constant && !Modifier.isFinal(field.getModifiers()), false);
            }
            CHECK.due(each + " has twenty fields at most: " + fields, fields <= 20, true);
            for (Method method : each.getDeclaredMethods()) {
                boolean ofFace = each == YearHands.class && !Modifier.isPrivate(method.getModifiers());
                CHECK.due(method + " bears a name of the face", names.contains(method.getName()), ofFace);
                CHECK.due(method + " has seven parameters at most", method.getParameterCount() <= 7, true);
            }
        }
    }

    private static void text() throws IOException {
        String text = Files.readString(Path.of("src/main/java/YearHands.java"), StandardCharsets.ISO_8859_1);
        String bare = text.replaceAll("(?s)/\\*.*?\\*/", " ").replaceAll("//[^\n]*", " ").replaceAll("\"[^\"\n]*\"", "\"\"");
        for (String word : new String[] {"throw", "throws", "try", "catch", "finally", "synchronized", "assert", "import",
            "package", "yield", "var", "record", "volatile", "native", "equals", "hashCode", "toString"}) {
            CHECK.due("the word " + word, Pattern.compile("\\b" + word + "\\b").matcher(bare).find(), false);
        }
        for (String sign : new String[] {"->", "::", "\"\" +", "+ \"\"", "\"\"\""}) {
            CHECK.due("the signs " + sign, bare.contains(sign), false);
        }
        for (int i = 0; i < text.length(); i++) {
            char sign = text.charAt(i);
            if (sign > 126 || sign < 32 && sign != 10) {
                CHECK.due("the sign at " + i, sign, 10);
            }
        }
        library(bare);
        lengths(text);
    }

    private static void library(String bare) {
        Matcher matcher = Pattern.compile("\\b([A-Z]\\w+)\\.(\\w+)\\(").matcher(bare);
        TreeSet<String> allowed = new TreeSet<>(Arrays.asList("Math.max", "Math.min", "Math.abs", "Integer.bitCount",
            "System.arraycopy", "SIGNS.indexOf", "WORDS.length", "WORDS.charAt"));
        while (matcher.find()) {
            String call = matcher.group(1) + "." + matcher.group(2);
            boolean own = Arrays.stream(YearHands.class.getDeclaredClasses())
                .anyMatch(c -> c.getSimpleName().equals(matcher.group(1)));
            CHECK.due("the call of " + call, own || allowed.contains(call), true);
        }
    }

    /** A method goes from a line that opens it to the one that closes it, as far to the right. */
    private static void lengths(String text) {
        String[] lines = text.split("\n");
        for (int i = 0; i < lines.length; i++) {
            if (lines[i].matches("( {4}| {8})\\w[^;=]*\\) \\{")) {
                String close = lines[i].replaceAll("\\S.*", "") + "}";
                int last = i;
                while (last < lines.length && !lines[last].equals(close)) {
                    last++;
                }
                CHECK.due("sixty lines at most: " + lines[i].trim() + " has " + (last - i + 1), last - i < 60, true);
            }
        }
    }
}
