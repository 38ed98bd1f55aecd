/** The law's text: its fault by a machine that goes byte by byte, its value by taking the text apart from the right. */
final class OracleLaw {
    private OracleLaw() { }

    /** The first byte with which no text goes on, the length if it ends too early, or -1. */
    static int fault(String text) {
        int[] prefixes = new int[10];
        boolean[] compared = new boolean[10];
        int depth = 0;
        int open = 0;
        boolean wanted = true;
        boolean guarded = false;
        int digits = 0;
        for (int i = 0; i < text.length(); i++) {
            char c = text.charAt(i);
            if (wanted) {
                if ("!-(".indexOf(c) >= 0) {
                    if (open == 6) {
                        return i;
                    }
                    open++;
                    prefixes[depth]++;
                    if (c == '(') {
                        depth++;
                        prefixes[depth] = 0;
                        compared[depth] = false;
                    }
                    continue;
                }
                digits = c >= '0' && c <= '9' ? 1 : 0;
                if (digits == 0 && "aboknm".indexOf(c) < 0) {
                    return i;
                }
                wanted = false;
                open -= prefixes[depth];
                prefixes[depth] = 0;
                continue;
            }
            if (c >= '0' && c <= '9') {
                if (digits == 0 || digits == 4) {
                    return i;
                }
                digits++;
                continue;
            }
            digits = 0;
            if (c == ')') {
                if (depth == 0) {
                    return i;
                }
                depth--;
                open -= prefixes[depth];
                prefixes[depth] = 0;
                continue;
            }
            if ("<=>".indexOf(c) >= 0) {
                if (compared[depth]) {
                    return i;
                }
                compared[depth] = true;
            } else if (c == '|' || c == '&') {
                compared[depth] = false;
            } else if (c == '?') {
                if (depth > 0 || guarded) {
                    return i;
                }
                guarded = true;
                compared[0] = false;
            } else if (c == ';') {
                if (depth > 0) {
                    return i;
                }
                guarded = false;
                compared[0] = false;
            } else if ("+-*/%".indexOf(c) < 0) {
                return i;
            }
            wanted = true;
        }
        return wanted || depth > 0 ? text.length() : -1;
    }

    /** names: a b o k n m. */
    static int value(String text, int[] names) {
        for (String line : text.split(";")) {
            int guard = line.indexOf('?');
            if (guard < 0) {
                return worked(line, names);
            }
            if (worked(line.substring(0, guard), names) != 0) {
                return worked(line.substring(guard + 1), names);
            }
        }
        return 0;
    }

    /** Parts a faultless E at its last sign of the weakest sort outside of brackets. */
    private static int worked(String e, int[] names) {
        for (String signs : new String[] {"|", "&", "<=>", "+-", "*/%"}) {
            int depth = 0;
            for (int i = e.length() - 1; i > 0; i--) {
                char c = e.charAt(i);
                depth += c == ')' ? 1 : c == '(' ? -1 : 0;
                boolean behindOperand = Character.isLetterOrDigit(e.charAt(i - 1)) || e.charAt(i - 1) == ')';
                if (depth == 0 && behindOperand && signs.indexOf(c) >= 0) {
                    return joined(c, worked(e.substring(0, i), names), worked(e.substring(i + 1), names));
                }
            }
        }
        char c = e.charAt(0);
        switch (c) {
            case '!':
                return worked(e.substring(1), names) == 0 ? 1 : 0;
            case '-':
                return -worked(e.substring(1), names);
            case '(':
                return worked(e.substring(1, e.length() - 1), names);
            default:
                return Character.isDigit(c) ? Integer.parseInt(e) : names["aboknm".indexOf(c)];
        }
    }

    private static int joined(char sign, int left, int right) {
        return switch (sign) {
            case '|' -> left != 0 | right != 0 ? 1 : 0;
            case '&' -> left != 0 & right != 0 ? 1 : 0;
            case '<' -> left < right ? 1 : 0;
            case '=' -> left == right ? 1 : 0;
            case '>' -> left > right ? 1 : 0;
            case '+' -> left + right;
            case '-' -> left - right;
            case '*' -> left * right;
            case '/' -> right == 0 ? 0 : left / right;
            case '%' -> right == 0 ? 0 : left % right;
            default -> throw new IllegalArgumentException();
        };
    }
}
