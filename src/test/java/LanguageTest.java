import java.io.IOException;
import java.nio.file.Files;
import java.nio.file.Path;
import java.util.ArrayList;
import java.util.Arrays;
import java.util.HashSet;
import java.util.List;
import java.util.Set;
import java.util.regex.Matcher;
import java.util.regex.Pattern;

/** The rules of ../shared/LANGUAGE.md that can be read off the source and off the compiled face. */
public final class LanguageTest {
    private static final Check CHECK = new Check();
    private static final Pattern METHOD = Pattern.compile(
        "^ +(?:public |private |static |final )*[\\w\\[\\]]+ (\\w+)\\(([^)]*)\\)(?: throws \\w+)? \\{$");

    public static void main(String[] args) throws IOException {
        List<String> lines = Files.readAllLines(Path.of("src/main/java/LabourExchange.java"));
        String code = String.join("\n", lines).replaceAll("/\\*\\*?[^*]*(?:\\*(?!/)[^*]*)*\\*/", "")
            .replaceAll("//[^\n]*", "");
        words(code);
        face();
        methods(lines);
        classes(code);
        CHECK.end();
    }

    private static void words(String code) {
        String[] banned = {"\\btry\\b", "\\bcatch\\b", "\\bfinally\\b", "->", "::", "\\bsynchronized\\b", "\\bassert\\b",
            "Exact\\b", "\\bpackage\\b", "\\brecord\\b", "\\binstanceof\\b", "\\bstatic \\{", "\"\\s*\\+", "\\+\\s*\"",
            "\\bequals\\b", "\\bhashCode\\b", "\\btoString\\b", "\\bSystem\\.(?!arraycopy)", "\\bString\\.", "\\bfloat\\b",
            "\\bdouble\\b", "\\bObject\\b", "\\bwhile\\b", "\\bprotected\\b", "[|&^]="};
        for (String word : banned) {
            CHECK.due("banned: " + word, false, Pattern.compile(word).matcher(code).find());
        }
        Matcher imports = Pattern.compile("import (\\S+);").matcher(code);
        Set<String> found = new HashSet<>();
        while (imports.find()) {
            found.add(imports.group(1));
        }
        CHECK.due("imports", true, found.equals(Set.of("java.util.Arrays", "java.util.NoSuchElementException")));
        for (char c : code.toCharArray()) {
            if (c < 10 || c > 126) {
                CHECK.due("character " + (int) c, 0, 1);
            }
        }
    }

    private static void face() {
        Set<String> methods = new HashSet<>();
        for (var m : LabourExchange.class.getDeclaredMethods()) {
            if (!java.lang.reflect.Modifier.isPrivate(m.getModifiers())) {
                methods.add(m.getName());
            }
        }
        List<String> want = Arrays.asList("office", "person", "feed", "book", "returns", "stamps", "text", "fault",
            "event", "back", "told", "days", "look", "day", "claim", "value", "law", "paid", "fund", "vacancy", "known",
            "offer", "offerOf", "answer", "send", "sent", "price", "proves", "judge", "appeal", "close", "caseOf",
            "attempt", "tried", "count");
        CHECK.due("the face", true, methods.equals(new HashSet<>(want)));
        for (var f : LabourExchange.class.getDeclaredFields()) {
            boolean open = !java.lang.reflect.Modifier.isPrivate(f.getModifiers());
            CHECK.due("open field " + f.getName(), f.getName().equals("NONE"), open);
        }
        for (var c : LabourExchange.class.getDeclaredClasses()) {
            for (var m : c.getDeclaredMethods()) {
                CHECK.due("a public name inside: " + m.getName(), false, want.contains(m.getName()));
            }
            int fields = 0;
            for (var f : c.getDeclaredFields()) {
                fields += java.lang.reflect.Modifier.isStatic(f.getModifiers()) ? 0 : 1;
            }
            CHECK.due("fields of " + c.getName() + ": " + fields, true, fields <= 22);
        }
    }

    private static void methods(List<String> lines) {
        List<String> seen = new ArrayList<>();
        int start = -1;
        String name = "";
        String indent = "";
        for (int i = 0; i < lines.size(); i++) {
            Matcher m = METHOD.matcher(lines.get(i));
            if (start < 0 && m.matches()) {
                start = i;
                name = m.group(1);
                indent = lines.get(i).substring(0, lines.get(i).indexOf(lines.get(i).trim()));
                int params = m.group(2).isEmpty() ? 0 : m.group(2).split(",").length;
                CHECK.due("parameters of " + name, true, params <= 7);
                seen.add(name);
            } else if (start >= 0 && lines.get(i).equals(indent + "}")) {
                CHECK.due("lines of " + name, true, i - start < 60);
                start = -1;
            }
            CHECK.due("width of line " + (i + 1), true, lines.get(i).length() <= 120);
        }
        CHECK.due("methods read", true, seen.size() > 100);
    }

    private static void classes(String code) {
        Matcher m = Pattern.compile("\\bclass \\w+").matcher(code);
        int n = 0;
        while (m.find()) {
            n++;
        }
        CHECK.due("classes", true, n <= 12);
    }
}
