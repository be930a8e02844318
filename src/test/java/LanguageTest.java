import java.io.IOException;
import java.nio.charset.StandardCharsets;
import java.nio.file.Files;
import java.nio.file.Path;
import java.util.List;
import java.util.Set;
import java.util.regex.Matcher;
import java.util.regex.Pattern;

/** What a glance at the source can tell of LANGUAGE.md's rules; run from the project's root. */
public final class LanguageTest {
    private static final String[] BANNED = {
        "try", "catch", "finally", "synchronized", "assert", "protected", "double", "float", "NaN", "while",
        "Random", "Thread", "System\\.(?!arraycopy)", "\\w+Exact", "->", "::", "static \\{", "getMessage",
        "hashCode", "toString", "package", "native", "volatile", "transient", "Object", "var"};
    private static final Set<String> IMPORTS = Set.of(
            "import java.util.Arrays;", "import java.util.NoSuchElementException;");

    public static void main(String[] args) throws IOException {
        String source = Files.readString(Path.of("src/main/java/EaveRoofs.java"), StandardCharsets.UTF_8);
        Check.yes("plain signs", source.chars().allMatch(c -> c == '\n' || c >= 32 && c < 127));
        String code = source.replaceAll("(?s)/\\*.*?\\*/", "").replaceAll("//[^\n]*", "");
        for (String banned : BANNED) {
            String word = Character.isLetter(banned.charAt(0)) ? "\\b" + banned + "(?!\\w)" : banned;
            Matcher found = Pattern.compile(word).matcher(code);
            Check.yes("banned: " + banned, !found.find());
        }
        for (String line : code.split("\n")) {
            Check.yes(line, !line.startsWith("import") || IMPORTS.contains(line.trim()));
        }
        Check.eq("throws", code.split("throw new").length - 1, 1);
        lengths(List.of(code.split("\n")));
        Check.end();
    }

    /** From a line that opens a method to the one that closes it, by how far they stand in. */
    private static void lengths(List<String> lines) {
        Pattern head = Pattern.compile("^( +)[\\w\\[\\]<> ]+\\(.*\\).*\\{$");
        for (int i = 0; i < lines.size(); i++) {
            Matcher opens = head.matcher(lines.get(i));
            String indent = opens.matches() ? opens.group(1) : "";
            if (indent.length() != 4 && indent.length() != 8) {
                continue;
            }
            int end = i;
            while (end < lines.size() && !lines.get(end).equals(indent + "}")) {
                end++;
            }
            Check.yes("short: " + lines.get(i).trim(), end - i <= 60);
        }
    }
}
