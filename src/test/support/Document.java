import java.io.IOException;
import java.nio.charset.StandardCharsets;
import java.nio.file.Files;
import java.nio.file.Path;
import java.util.ArrayList;
import java.util.List;

/** The document in pieces: what stands ahead of the promises, and each promise. */
final class Document {
    private static final Path FILE = Path.of("../shared/DOC.md");
    private final String all;

    Document() throws IOException {
        all = Files.readString(FILE, StandardCharsets.UTF_8);
    }

    /** The words of a promise, or, for 0, what the document says ahead of its examples but for the face. */
    String words(int promise) {
        if (promise == 0) {
            return joined(between("## What it is\n", "## The public face") + between("## Terms\n", "Examples:"));
        }
        return joined(between("## Promise " + promise + ":", "\n## "));
    }

    /** The pieces of which each must have a test: sentences, and what stands between two semicolons. */
    List<String> clauses(int promise) {
        List<String> clauses = new ArrayList<>();
        if (promise == 0) {
            addPieces(clauses, joined(between("## Terms\n", "Examples:")), "(?<=[.;]) ");
            clauses.removeIf(clause -> clause.matches("[A-Z][a-z]+( doubt)?\\."));
            return clauses;
        }
        for (String line : between("## Promise " + promise + ":", "\n## ").split("\n")) {
            boolean isParameter = line.startsWith("- `");
            String said = line.replaceFirst("^(- )?`[^`]*`: ", "");
            if (isParameter && said.matches(".*\\d.*")) {
                addPieces(clauses, said, ", (?=\\d+ for )");
            } else if (!isParameter && (line.startsWith("`") || line.startsWith("Returns "))) {
                addPieces(clauses, said, "(?<=[.;]) ");
            }
        }
        return clauses;
    }

    private static void addPieces(List<String> clauses, String said, String border) {
        for (String piece : said.split(border)) {
            clauses.add(piece.trim());
        }
    }

    private static String joined(String lines) {
        return lines.replaceAll("\\s+", " ").trim();
    }

    private String between(String from, String to) {
        int start = all.indexOf(from);
        if (start < 0) {
            throw new IllegalStateException("the document does not have: " + from);
        }
        int end = all.indexOf(to, start + from.length());
        return all.substring(start + from.length(), end < 0 ? all.length() : end);
    }
}
