/** The FAULT of a text found another way than by levels: byte by byte, with what may come next. */
final class Faults {
    private Faults() {
    }

    /** The place, or -1. */
    static int of(String text, String names) {
        StringBuilder open = new StringBuilder();
        boolean[] compared = new boolean[60];
        int brackets = 0;
        int digits = 0;
        boolean wantsOperand = true;
        for (int i = 0; i < text.length(); i++) {
            char c = text.charAt(i);
            boolean isDigit = Character.isDigit(c);
            if (wantsOperand) {
                if ((c == '!' || c == '(') && open.length() < 5) {
                    open.append(c);
                    if (c == '(') {
                        brackets++;
                        compared[brackets] = false;
                    }
                    continue;
                }
                if (!isDigit && names.indexOf(c) < 0) {
                    return i;
                }
                wantsOperand = false;
                digits = isDigit ? 1 : 99;
                dropNots(open);
            } else if (isDigit && digits < 4) {
                digits++;
            } else if (c == ')' && brackets > 0) {
                brackets--;
                open.setLength(open.length() - 1);
                dropNots(open);
                digits = 99;
            } else if ("<=>".indexOf(c) >= 0 && !compared[brackets]) {
                compared[brackets] = true;
                wantsOperand = true;
            } else if ("|&+-*/%".indexOf(c) >= 0) {
                compared[brackets] &= c != '|' && c != '&';
                wantsOperand = true;
            } else {
                return i;
            }
        }
        return wantsOperand || brackets > 0 ? text.length() : -1;
    }

    private static void dropNots(StringBuilder open) {
        while (open.length() > 0 && open.charAt(open.length() - 1) == '!') {
            open.setLength(open.length() - 1);
        }
    }
}
