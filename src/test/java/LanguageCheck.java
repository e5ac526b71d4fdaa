import java.io.IOException;
import java.nio.file.Files;
import java.nio.file.Path;
import java.util.ArrayList;
import java.util.List;
import java.util.Set;
import java.util.TreeSet;
import java.util.regex.Matcher;
import java.util.regex.Pattern;

/** What of the rules in LANGUAGE.md can be seen from the source's lines: LanguageCheck FILE. */
public final class LanguageCheck {
    private static final Set<String> FACE = Set.of("NONE", "WarmerColder", "feed", "end", "court",
            "law", "thing", "far", "answer", "answers", "strike", "only", "holds", "wrong", "kept",
            "world", "may", "cleared", "fewest", "falseOnes", "liars", "quarrel", "proof", "byLaws",
            "looks", "sure", "alone", "mean", "useful", "filled", "next", "needed", "steered",
            "spare", "seed", "trials", "verdict", "old", "count", "image", "back");
    private static final Pattern MEMBER = Pattern.compile(
            "^( +)(public |private )?(static )?(final )?([A-Za-z]+(?:\\[\\])? )?([A-Za-z]+)\\((.*)\\) \\{$");
    private static final Pattern FIELD = Pattern.compile(
            "^ +(private|public) (static final )?(?:final )?[A-Za-z]+(?:\\[\\])? ([A-Za-z_]+)( = .*)?;$");
    private static final Pattern CHANGING_REFERENCE = Pattern.compile(
            "^ +private (?!static |final )(?!(?:int|long|boolean|byte|char|short) )[A-Za-z]+(?:\\[\\])? [A-Za-z]+( = .*)?;$");
    private static final Pattern CLASS = Pattern.compile("^( *).*\\bclass ([A-Za-z]+) \\{$");

    private LanguageCheck() {
    }

    public static void main(String[] args) throws IOException {
        String text = Files.readString(Path.of(args.length > 0 ? args[0] : "src/main/java/WarmerColder.java"));
        String code = text.replaceAll("(?s)/\\*.*?\\*/", "").replaceAll("//[^\n]*", "")
                .replaceAll("'.'", "0").replaceAll("\"[^\"\n]*\"", "STRING");
        for (String word : List.of("throw", "throws", "try", "catch", "finally", "synchronized", "assert",
                "import", "package", "protected", "volatile", "native", "strictfp", "var", "yield")) {
            boolean found = Pattern.compile("\\b" + word + "\\b").matcher(code).find();
            Due.is("rule 6: " + word, found, false);
        }
        for (String sign : List.of("->", "::", "static {", "+ STRING", "STRING +", "@", ".equals(", "== STRING")) {
            Due.is("rules 2, 5, 6, 10: " + sign, code.contains(sign), false);
        }
        readMembers(code);
        checkReferences(code);
        checkMaking(code);
        Due.end("LanguageCheck");
    }

    private static void readMembers(String code) {
        Set<String> open = new TreeSet<>();
        List<String> hidden = new ArrayList<>();
        String[] lines = code.split("\n");
        String in = "";
        int classes = 0;
        int fields = 0;
        for (int i = 0; i < lines.length; i++) {
            Matcher member = MEMBER.matcher(lines[i]);
            Matcher field = FIELD.matcher(lines[i]);
            Matcher type = CLASS.matcher(lines[i]);
            if (type.find()) {
                in = type.group(2);
                classes++;
                fields = 0;
                Due.is("rule 2: class " + in, type.group(1).isEmpty() || lines[i].contains("private static"), true);
            } else if (member.find() && member.group(1).length() <= 8 && !lines[i].matches(" +(if|for|while|switch|\\}).*")) {
                checkMethod(lines, i, in, member);
                if ("public ".equals(member.group(2))) {
                    open.add(member.group(6));
                } else {
                    Due.is("rule 1: hidden " + member.group(6), "private ".equals(member.group(2)), true);
                    hidden.add(member.group(6));
                }
            } else if (field.find()) {
                boolean isConstant = field.group(2) != null;
                fields += isConstant ? 0 : 1;
                Due.is("rule 11: fields of " + in + " up to " + field.group(3), fields <= 20, true);
                if (field.group(1).equals("public")) {
                    open.add(field.group(3));
                }
            }
        }
        Due.is("rule 1: the face", open.equals(FACE), true);
        hidden.retainAll(FACE);
        Due.is("rule 1: hidden methods with names of the face " + hidden, hidden.size(), 0);
        Due.is("rule 11: classes", classes <= 12, true);
    }

    private static void checkMethod(String[] lines, int from, String in, Matcher member) {
        int to = from;
        while (to < lines.length && !lines[to].equals(member.group(1) + "}")) {
            to++;
        }
        String name = in + "." + member.group(6);
        Due.is("rule 11: lines of " + name, to - from <= 60, true);
        Due.is("rule 11: parameters of " + name, member.group(7).split(",").length <= 7, true);
    }

    /** A field that is set once, where it stands, is never null when it is used. */
    private static void checkReferences(String code) {
        for (String line : code.split("\n")) {
            Due.is("rule 7: may be null:" + line, CHANGING_REFERENCE.matcher(line).find(), false);
        }
    }

    /** What is made, is made where a field stands or in a constructor: no call makes more. */
    private static void checkMaking(String code) {
        boolean inConstructor = false;
        for (String line : code.split("\n")) {
            if (line.startsWith("    public WarmerColder() {")) {
                inConstructor = true;
            } else if (line.equals("    }")) {
                inConstructor = false;
            }
            boolean makes = line.matches(".*\\bnew\\b.*") || line.contains(".clone()") || line.contains("[] {");
            boolean isField = line.matches(" +private (static )?final .*;");
            Due.is("rule 12: made by a call:" + line, makes && !inConstructor && !isField, false);
        }
    }
}
