import java.math.BigInteger;

/** The test vectors of RFC 7748, whose X25519 is the document's ladder. */
public final class KnownAnswersTest {
    private static final String NINE = "0900000000000000000000000000000000000000000000000000000000000000";
    private static final Due DUE = new Due("KnownAnswersTest");

    public static void main(String[] args) {
        due("a546e36bf0527c9d3b16154b82465edd62144c0ac1fc5a18506a2244ba449ac4",
            "e6db6867583030db3594c1a424b15f7c726624ec26b3353b10a903a6d0ab1c4c",
            "c3da55379de9c6908e94ea4df28d084f32eccf03491c71f754b4075577a28552");
        due("4b66e9d4d1b4673c5ad22691957d6af5c11b6421e0ea01d42ca4169e7918ba0d",
            "e5210f12786811d3f4b7959d0538ae2c31dbe7106fc03c3efc4cd549c715a493",
            "95cbde9476e8907d7aade45cb4b873f88b595a68799fa152e6f8f7647aac7957");
        repeated();
        DUE.end();
    }

    private static void due(String scalar, String point, String want) {
        DUE.sameLongs("ladder of " + scalar, product(words(scalar), words(point)), words(want));
    }

    private static void repeated() {
        long[] k = words(NINE);
        long[] u = words(NINE);
        for (int i = 1; i <= 1000; i++) {
            long[] next = product(k, u);
            u = k;
            k = next;
            if (i == 1) {
                DUE.sameLongs("once", k, words("422c8e7a6227d7bca1350b3e2bb7279f7897b87bb6854b783c60e80311ae3079"));
            }
        }
        DUE.sameLongs("1000 times", k, words("684cf59ba83309552800ef566f2f4d3c1c3887c49360e3875f2eb94d99532c51"));
    }

    private static long[] product(long[] scalar, long[] point) {
        return Desks.out(Desks.finished(scalar, point));
    }

    /** RFC 7748 writes the lowest byte first. */
    private static long[] words(String hex) {
        BigInteger n = BigInteger.ZERO;
        for (int i = 62; i >= 0; i -= 2) {
            n = n.shiftLeft(8).or(BigInteger.valueOf(Integer.parseInt(hex.substring(i, i + 2), 16)));
        }
        return Reference.words(n);
    }
}
